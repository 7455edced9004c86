import java.nio.file.Files;
import java.nio.file.Path;
import java.util.ArrayList;
import java.util.List;

/** The words that tests stand for: the promises' own and the terms'; it keeps in mind which were quoted. */
final class Document {
    private static final int PROMISES = 40;

    private static final class Part {
        final String name;
        final String words;
        final boolean[] quoted;

        Part(String name, String words) {
            this.name = name;
            this.words = words;
            quoted = new boolean[words.length()];
        }

        boolean quote(String some) {
            boolean found = false;
            for (int at = words.indexOf(some); at >= 0; at = words.indexOf(some, at + 1)) {
                found = true;
                for (int k = at; k < at + some.length(); k++) {
                    quoted[k] = true;
                }
            }
            return found;
        }

        /** The stretches of letters and digits that no test quotes. */
        void addUnquoted(List<String> all) {
            StringBuilder stretch = new StringBuilder();
            for (int k = 0; k <= words.length(); k++) {
                if (k < words.length() && !quoted[k]) {
                    stretch.append(words.charAt(k));
                } else {
                    if (stretch.chars().anyMatch(Character::isLetterOrDigit)) {
                        all.add(name + ": " + stretch);
                    }
                    stretch.setLength(0);
                }
            }
        }
    }

    private final Part terms;
    private final Part[] promises = new Part[PROMISES + 1];

    private Document(String whole) {
        String start = "==== 1 ";
        String end = "The constants: ";
        terms = new Part("terms", whole.substring(whole.indexOf(start) + start.length(), whole.indexOf(end)));
        for (int p = 1; p <= PROMISES; p++) {
            int heading = whole.indexOf("## Promise " + p + ": ");
            // The words follow the signature, which stands between ` and `:
            int words = whole.indexOf("`: ", heading) + 3;
            promises[p] = new Part("promise " + p, whole.substring(words, whole.indexOf(" ## ", words)));
        }
    }

    static Document read(Path file) throws java.io.IOException {
        return new Document(plain(Files.readString(file)));
    }

    private static String plain(String text) {
        return text.replace("```text", " ").replace("```", " ").replaceAll("==== [23] |In doubt\\. ", "").replaceAll("\\s+", " ");
    }

    /** Whether the words stand in the promise, or else in the terms. */
    boolean quote(int promise, String words) {
        return promise >= 1 && promise <= PROMISES && (promises[promise].quote(words) || terms.quote(words));
    }

    List<String> unquoted() {
        List<String> all = new ArrayList<>();
        terms.addUnquoted(all);
        for (int p = 1; p <= PROMISES; p++) {
            promises[p].addUnquoted(all);
        }
        return all;
    }
}
