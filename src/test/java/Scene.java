import java.nio.charset.StandardCharsets;
import java.util.ArrayList;
import java.util.List;

/** A run of calls that is played on a new object each time, so that no object is used for more than 512 calls. */
final class Scene {
    /** One call, with its answer. */
    interface Call {
        long on(HandNews news);
    }

    private static final int MOST_CALLS = 512;

    final String name;
    private final List<Call> calls = new ArrayList<>();
    private List<Long> unchanged = null;

    Scene(String name) {
        this.name = name;
    }

    Scene and(Call call) {
        calls.add(call);
        return this;
    }

    /** Writes this text, eight bytes a call. */
    Scene write(String text) {
        byte[] bytes = text.getBytes(StandardCharsets.ISO_8859_1);
        for (int at = 0; at < bytes.length; at += 8) {
            int n = Math.min(8, bytes.length - at);
            long v = 0;
            for (int i = 0; i < n; i++) {
                v = v << 8 | bytes[at + i] & 255;
            }
            long chunk = v;
            and(news -> news.write(n, chunk));
        }
        return this;
    }

    /** Another scene that begins with all calls of this one. */
    Scene copy(String newName) {
        Scene scene = new Scene(newName);
        scene.calls.addAll(calls);
        return scene;
    }

    HandNews play() {
        HandNews news = new HandNews();
        for (Call call : calls) {
            call.on(news);
        }
        return news;
    }

    /** The first question that is answered otherwise once this call was made, or null. */
    String changedBy(Call call) {
        if (unchanged == null) {
            unchanged = answers(news -> 0);
        }
        List<Long> after = answers(call);
        for (int i = 0; i < after.size(); i++) {
            if (!after.get(i).equals(unchanged.get(i))) {
                return Questions.nameOf(i) + " was " + unchanged.get(i) + ", is " + after.get(i);
            }
        }
        return null;
    }

    private List<Long> answers(Call call) {
        List<Long> answers = new ArrayList<>();
        for (List<Questions.Question> group : Questions.GROUPS) {
            if (calls.size() + 1 + group.size() > MOST_CALLS) {
                throw new IllegalStateException("too many calls in " + name + ": " + calls.size());
            }
            HandNews news = play();
            call.on(news);
            for (Questions.Question question : group) {
                answers.add(question.call().on(news));
            }
        }
        return answers;
    }
}
