import java.util.LinkedHashMap;
import java.util.Map;
import java.util.function.Consumer;
import java.util.function.Supplier;

/**
 * All that an object answers, by call, so that a test can show that nothing else has changed. A shot takes 296 of the
 * 512 calls of an object: what was before is therefore asked of a twin, made by the same calls.
 */
final class Shot {
    private Shot() {
    }

    static Map<String, Integer> of(CodeCacheMachine x) {
        Map<String, Integer> shot = new LinkedHashMap<>();
        shot.put("run(0)", x.run(0));
        shot.put("executed()", x.executed());
        shot.put("place()", x.place());
        shot.put("printed()", x.printed());
        for (int k = 0; k < 8; k++) {
            shot.put("look(" + k + ")", x.look(k));
            shot.put("register(" + k + ")", x.register(k));
        }
        for (int k = 0; k < 20; k++) {
            shot.put("output(" + k + ")", x.output(k));
        }
        for (int p = 0; p < 128; p++) {
            shot.put("peek(" + p + ")", x.peek(p));
            shot.put("translated(" + p + ")", x.translated(p));
        }
        return shot;
    }

    static void due(String when, CodeCacheMachine x, Map<String, Integer> want) {
        Map<String, Integer> got = of(x);
        for (String call : want.keySet()) {
            Due.due(when + ": " + call, got.get(call), want.get(call));
        }
    }

    static void changesNothing(String when, Supplier<CodeCacheMachine> maker, Consumer<CodeCacheMachine> calls) {
        Map<String, Integer> before = of(maker.get());
        CodeCacheMachine x = maker.get();
        calls.accept(x);
        due(when, x, before);
    }
}
