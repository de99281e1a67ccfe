import java.util.List;

/**
 * What the tests share: each looks at the document sentence by sentence, prints every answer that is
 * not as due with the promise and the sentence that ask for it, and ends with 1 if there was one.
 */
final class Check {
    interface Answer {
        Object get();
    }

    interface Call {
        Object of(AllocForge forge);
    }

    interface Maker {
        AllocForge make();
    }

    interface Part {
        void of(Check check);
    }

    private final String promise;
    private String sentence = "";
    private int sentences;
    private int lookedInSentence;
    private int looked;
    private int wrong;

    Check(String promise) {
        this.promise = promise;
    }

    /** Looks at all parts, also behind one that breaks off, and ends. */
    void lookAt(Part... parts) {
        for (Part part : parts) {
            try {
                part.of(this);
            } catch (RuntimeException e) {
                tell("broken off by " + e + " at " + e.getStackTrace()[0]);
            }
        }
        end();
    }

    /** What is looked at from now on is asked for by these words of the document, or is a case of them. */
    void sentence(String words) {
        endSentence();
        sentence = words;
        sentences++;
        lookedInSentence = 0;
    }

    /** Looks whether the answer is what is due; an exception's class is the answer of a call that throws it. */
    void due(Object want, String what, Answer answer) {
        looked++;
        lookedInSentence++;
        Object got;
        try {
            got = answer.get();
        } catch (RuntimeException e) {
            got = e.getClass();
        }
        if (!want.equals(got)) {
            tell(what + " answered " + got + ", due is " + want);
        }
    }

    void badArgument(String what, Answer answer) {
        due(IllegalArgumentException.class, what, answer);
    }

    void badState(String what, Answer answer) {
        due(IllegalStateException.class, what, answer);
    }

    void badIndex(String what, Answer answer) {
        due(IndexOutOfBoundsException.class, what, answer);
    }

    void fault(String what, Answer answer) {
        due(ArithmeticException.class, what, answer);
    }

    /** Looks whether a new object refuses the call as due, and answers all that can be asked as before. */
    void refused(Class<?> want, String what, Maker maker, Call call) {
        AllocForge forge = maker.make();
        List<String> before = Forges.state(forge);
        due(want, what, () -> call.of(forge));
        asBefore(before, "behind the refused " + what, forge);
    }

    /** Looks whether all that can be asked is answered as before; of several others, the first is told. */
    void asBefore(List<String> before, String what, AllocForge forge) {
        List<String> now = Forges.state(forge);
        int same = 0;
        while (same < before.size() && same < now.size() && before.get(same).equals(now.get(same))) {
            same++;
        }
        int first = same;
        due(answerAt(before, first), "what can be asked " + what, () -> answerAt(now, first));
    }

    private static String answerAt(List<String> answers, int i) {
        return i < answers.size() ? answers.get(i) : "nothing more";
    }

    void end() {
        endSentence();
        System.out.println(promise + ": " + sentences + " sentences, " + looked + " answers looked at, "
                + wrong + " not as due");
        if (wrong > 0 || looked == 0) {
            System.exit(1);
        }
    }

    // A sentence under which nothing is looked at would seem to hold.
    private void endSentence() {
        if (sentences > 0 && lookedInSentence == 0) {
            tell("nothing was looked at");
        }
    }

    private void tell(String text) {
        wrong++;
        System.out.println(promise + ", \"" + sentence + "\": " + text);
    }
}
