/** A sentence of the document, with runs that would answer otherwise if it did not hold. */
final class Sentence {
    private static String part = "";

    private Sentence() {
    }

    static void part(String name) {
        part = name;
    }

    /** Each run is on a new kernel. */
    static void says(String words, String... runs) {
        Due.in(part + ", '" + words + "'");
        for (String run : runs) {
            new Run().calls(run);
        }
    }
}
