import java.nio.charset.StandardCharsets;

/** Counts answers, prints those that are not as due, and ends the test. */
final class Check {
    private int asDue = 0;
    private int wrong = 0;
    private String sentence = "";

    /** The sentence of the document that the answers from here on are due by. */
    void sentence(String words) {
        sentence = "[" + words + "] ";
    }

    void due(String call, long want, long got) {
        if (want == got) {
            asDue++;
            return;
        }
        wrong++;
        System.out.println(sentence + call + " answered " + got + ", due is " + want);
    }

    void holds(String what, boolean so) {
        due(what, 1, so ? 1 : 0);
    }

    boolean hasWrong() {
        return wrong > 0;
    }

    void end() {
        System.out.println(asDue + " answers as due, " + wrong + " not");
        if (wrong > 0 || asDue == 0) {
            System.exit(1);
        }
    }

    /** Writes a text of rules, eight bytes a call; answers what the last call answered. */
    static int writeAll(HandNews news, String rules) {
        byte[] bytes = rules.getBytes(StandardCharsets.ISO_8859_1);
        int answer = 0;
        for (int at = 0; at < bytes.length; at += 8) {
            int n = Math.min(8, bytes.length - at);
            long v = 0;
            for (int i = 0; i < n; i++) {
                v = v << 8 | bytes[at + i] & 255;
            }
            answer = news.write(n, v);
        }
        return answer;
    }

    /** Wipes the text, writes this one and puts it in force. */
    static int putInForce(HandNews news, String rules) {
        news.wipe();
        writeAll(news, rules);
        return news.force();
    }

    /** Wipes the text, writes this one and asks for its fault. */
    static int faultOf(HandNews news, String rules) {
        news.wipe();
        writeAll(news, rules);
        return news.fault();
    }
}
