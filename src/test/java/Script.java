import java.util.List;

/** Writes bodies by the names that the document gives to instructions: "SET 3; CALL 1 0; END". */
final class Script {
    private static final List<String> NAMES = List.of("PUT", "SHOW", "SET", "ADD", "GO", "ZERO", "TASK", "BLOCK",
        "LEAVE", "CALL", "LIMIT", "LATE", "DELAY", "ACCEPT", "DONE", "SELECT", "WHEN", "IFX", "ELSE", "AFTER",
        "TERMINATE", "RAISE", "HANDLE", "OVER", "ABORT", "END");

    private Script() {
    }

    static int number(String name) {
        return NAMES.indexOf(name);
    }

    static RendezvousDesk desk(String... bodies) {
        RendezvousDesk desk = new RendezvousDesk();
        for (int body = 0; body < bodies.length; body++) {
            write(desk, body, bodies[body]);
        }
        return desk;
    }

    static void write(RendezvousDesk desk, int body, String text) {
        desk.clear(body);
        for (String part : text.split(";")) {
            if (part.isBlank()) {
                continue;
            }
            String[] words = part.trim().split(" +");
            int op = number(words[0]);
            int a = words.length > 1 ? Integer.parseInt(words[1]) : 0;
            int b = words.length > 2 ? Integer.parseInt(words[2]) : 0;
            if (desk.add(body, op, a, b) < 0) {
                throw new IllegalArgumentException(part);
            }
        }
    }
}
