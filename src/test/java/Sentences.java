import java.nio.file.Files;
import java.nio.file.Path;
import java.util.ArrayList;
import java.util.List;
import java.util.Set;

/** The sentences of the document's parts 'What it is' and Terms and of its promises, and how many checks each has. */
final class Sentences {
    // Headings, and what only tells of sentences that follow.
    private static final Set<String> WITHOUT_CHECKS = Set.of(
            "A parcel depot that handles hazardous parcels with protective gloves.", "Places and roads.", "Parcels.",
            "Gloves.", "Handling.", "Sacks.", "Carrying.", "Returns.", "Commands.", "Undo.", "Errors.", "Details.",
            "Parcels are put into sacks, sacks are carried along the shortest roads, delivered parcels can come back,"
                    + " and gloves wear out.",
            "The class computes distances, the greatest number of parcels that can be handled and that fit into a"
                    + " sack, each in two ways, carries out text commands, and can undo changes.");
    private static final List<Sentence> ALL = new ArrayList<>();

    private Sentences() {
    }

    static final class Sentence {
        final int promise;
        final String text;
        int checks = 0;

        Sentence(int promise, String text) {
            this.promise = promise;
            this.text = text;
        }
    }

    static void read(Path document) throws Exception {
        for (String part : Files.readString(document).split("(?m)^## ")) {
            String heading = part.substring(0, part.indexOf('\n'));
            if (heading.equals("What it is") || heading.equals("Terms")) {
                readPart(0, part.substring(heading.length()));
            } else if (heading.startsWith("Promise ")) {
                int promise = Integer.parseInt(heading.replaceAll("\\D*(\\d+):.*", "$1"));
                readPart(promise, part.substring(heading.length()));
            }
        }
    }

    private static void readPart(int promise, String part) {
        for (String paragraph : part.split("\n\n|\n(?=- )")) {
            // The method's head is FaceTest's.
            String text = paragraph.strip().replaceAll("\\s+", " ").replaceFirst("^`[^`]*`: ", "");
            for (String sentence : text.split("(?<=\\.) (?=[A-Z\"])")) {
                if (!sentence.isEmpty() && !WITHOUT_CHECKS.contains(sentence)) {
                    ALL.add(new Sentence(promise, sentence.replaceFirst("^- ", "")));
                }
            }
        }
    }

    static Sentence beginning(int promise, String beginning) {
        Sentence found = null;
        for (Sentence sentence : ALL) {
            if (sentence.promise == promise && sentence.text.startsWith(beginning)) {
                if (found != null) {
                    throw new IllegalArgumentException("two sentences begin with: " + beginning);
                }
                found = sentence;
            }
        }
        if (found == null) {
            throw new IllegalArgumentException("no sentence of promise " + promise + " begins with: " + beginning);
        }
        return found;
    }

    static void everySentenceIsChecked() {
        Check.promise(0);
        Check.holds("sentences in the document", ALL.size() > 250);
        for (Sentence sentence : ALL) {
            Check.holds("a check for '" + sentence.text + "' of promise " + sentence.promise, sentence.checks > 0);
        }
    }
}
