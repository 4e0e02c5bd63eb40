/** Counts the answers that are not the due ones, and prints each of them. */
final class Due {
    private static int asked = 0;
    private static int wrong = 0;
    private static int sentences = 0;
    private static String sentence = "";
    private static int askedBefore = 0;

    private Due() {
    }

    /** From here on the answers are looked at for these words of the document. */
    static void sentence(String place, String words) {
        endSentence();
        sentences++;
        sentence = place + " \"" + words + "\": ";
        askedBefore = asked;
    }

    /** Each test stands alone: one that throws is told under its sentence, and the next still runs. */
    static void tests(Runnable... tests) {
        for (Runnable test : tests) {
            try {
                test.run();
            } catch (RuntimeException thrown) {
                holds("no call throws (" + thrown + ")", false);
            }
        }
        end();
    }

    private static void endSentence() {
        if (!sentence.isEmpty() && asked == askedBefore) {
            wrong++;
            System.out.println(sentence + "nothing was asked");
        }
    }

    static void is(String call, int got, int want) {
        asked++;
        if (got != want) {
            wrong++;
            System.out.println(sentence + call + " answered " + got + ", due is " + want);
        }
    }

    static void holds(String what, boolean held) {
        asked++;
        if (!held) {
            wrong++;
            System.out.println(sentence + "does not hold: " + what);
        }
    }

    /** The last call of every test's main. A test that asked nothing fails too. */
    static void end() {
        endSentence();
        String of = sentences == 0 ? "" : " for " + sentences + " sentences";
        System.out.println(asked + " answers looked at" + of + ", " + wrong + " not as due");
        if (wrong != 0 || asked == 0) {
            System.exit(1);
        }
    }
}
