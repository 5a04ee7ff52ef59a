/** Long runs of calls, right and wrong ones, told to Twinchat and to Model: all answers are the same. */
public final class ModelTest {
    private static final int RUNS = 400;
    private static final int CALLS = 440;

    private final Twinchat chat = new Twinchat();
    private final Model model = new Model();
    private final int[] weights = new int[29];
    private final StringBuilder told = new StringBuilder();
    private int[] fewUsers;
    private long seed;
    private int calls;
    private String call;
    private boolean isIndexWrong;
    private boolean isArgumentWrong;
    private boolean isStateWrong;

    private ModelTest(long seed) {
        this.seed = seed * 7919 + 17;
        for (int k = 0; k < weights.length; k++) weights[k] = next(4) == 0 ? 0 : 1 + next(9);
        weights[0] += 3;
        weights[7] += 3;
        weights[24] = next(3) == 0 ? 1 : 0;
        int theme = next(4);
        if (theme == 1) {
            // few users who know each other: presence, subscriptions and blocks all of the time
            keep(7, 13, 4);
            weights[10] = 1;
            weights[12] = 1;
            fewUsers = new int[] {next(3), 3 + next(3), next(6)};
        } else if (theme == 2) {
            keep(15, 19, 3);
        } else if (theme == 3) {
            keep(0, 7, 2);
            weights[14] += 12;
            weights[20] += 12;
        }
    }

    private void keep(int from, int to, int more) {
        for (int k = 0; k < 24; k++) {
            if (k >= from && k <= to) weights[k] += more;
            else weights[k] = weights[k] / 4 + (next(3) == 0 ? 1 : 0);
        }
        weights[0]++;
        weights[7]++;
        weights[27] += more;
        weights[28] += more;
    }

    public static void main(String[] args) {
        int runs = args.length > 0 ? Integer.parseInt(args[0]) : RUNS;
        for (int run = 0; run < runs; run++) new ModelTest(run).run(run);
        System.exit(Check.closed("ModelTest"));
    }

    private int next(int bound) {
        seed = seed * 6364136223846793005L + 1442695040888963407L;
        return (int) ((seed >>> 33) % bound);
    }

    /** Mostly from 0 to bound - 1, now and then beside it. */
    private int index(int bound) {
        int k = next(60) == 0 ? next(2) == 0 ? -1 - next(3) : bound + next(3) : next(bound);
        if (k < 0 || k >= bound) {
            isIndexWrong = true;
            return k;
        }
        if (fewUsers != null && bound == 6) return fewUsers[next(fewUsers.length)];
        if (fewUsers != null && bound == 12) return 2 * fewUsers[next(fewUsers.length)] + next(2);
        return k;
    }

    private int ranged(int low, int high) {
        int k = next(60) == 0 ? next(2) == 0 ? low - 1 - next(3) : high + 1 + next(3) : low + next(high - low + 1);
        if (k < low || k > high) isArgumentWrong = true;
        return k;
    }

    private void run(int run) {
        int before = Check.failed;
        for (calls = 0; calls < CALLS; calls++) {
            act();
            if (calls % 7 == 0) look();
            if (Check.failed > before) {
                System.out.println("ModelTest run " + run + ":" + told);
                return;
            }
        }
        Check.that("run " + run + " digest", model.digest(), chat.digest());
    }

    private int chosen() {
        int sum = 0;
        for (int weight : weights) sum += weight;
        int left = next(sum);
        for (int k = 0; k < weights.length; k++) {
            left -= weights[k];
            if (left < 0) return k;
        }
        return 0;
    }

    private void act() {
        isIndexWrong = false;
        isArgumentWrong = false;
        isStateWrong = false;
        int op = chosen();
        if (op >= 24) {
            linkAct(op);
            return;
        }
        int r = index(12);
        int how = isIndexWrong ? 0 : model.streams[r].how;
        int wanted = op == 0 || op == 23 ? 0 : op == 4 || op == 5 || op == 22 ? 2 : 1;
        isStateWrong = how != wanted;
        // so that most acts are of a stream that is as it must be
        if (isStateWrong && !isIndexWrong && next(5) != 0) {
            for (int k = 0; k < 12; k++) {
                int other = (r + k) % 12;
                if (model.streams[other].how == wanted) {
                    r = other;
                    isStateWrong = false;
                    break;
                }
            }
        }
        if (op <= 6 || op >= 21) streamAct(op, r);
        else if (op <= 13) userAct(op, r);
        else roomAct(op, r);
    }

    private String due() {
        return isIndexWrong ? "IndexOutOfBoundsException" : isArgumentWrong ? "IllegalArgumentException"
                : isStateWrong ? "IllegalStateException" : null;
    }

    private interface Act {
        long answer();
    }

    private void both(String name, Act real, Act modelled) {
        call = name;
        told.append(' ').append(name);
        String due = due();
        if (due != null) Check.throwsBy(name, due, real::answer);
        else Check.that(name, modelled.answer(), Check.answerOf(name, real::answer));
    }

    private void streamAct(int op, int r) {
        switch (op) {
            case 0: case 23: both("login(" + r + ")", () -> chat.login(r), () -> model.login(r)); break;
            case 1: case 21: {
                int many = next(3) == 0 ? ranged(1, 99) : 1 + next(6);
                both("pull(" + r + ", " + many + ")", () -> chat.pull(r, many), () -> model.pull(r, many));
                break;
            }
            case 2: both("ack(" + r + ")", () -> chat.ack(r), () -> model.ack(r)); break;
            case 3: both("breaks(" + r + ")", () -> chat.breaks(r), () -> model.turn(r, 2)); break;
            case 4: case 22: both("resume(" + r + ")", () -> chat.resume(r), () -> model.turn(r, 1)); break;
            case 5: both("letGo(" + r + ")", () -> chat.letGo(r), () -> model.end(r, true)); break;
            default: both("logout(" + r + ")", () -> chat.logout(r), () -> model.end(r, false));
        }
    }

    private void userAct(int op, int r) {
        if (op == 7) {
            int priority = ranged(-5, 9);
            both("available(" + r + ", " + priority + ")", () -> chat.available(r, priority), () -> model.available(r, priority));
            return;
        }
        if (op == 8) {
            both("unavailable(" + r + ")", () -> chat.unavailable(r), () -> model.unavailable(r));
            return;
        }
        int v = index(6);
        if (!isIndexWrong && v == r / 2) {
            if (next(4) == 0) isArgumentWrong = true;
            else v = fewUsers != null ? fewUsers[0] == v ? fewUsers[1] : fewUsers[0] : (v + 1 + next(5)) % 6;
        }
        // so that what was asked is often approved
        for (int k = 0; op == 11 && due() == null && k < 6 && next(6) != 0; k++) if (model.from[r / 2][k] == 1) v = k;
        int u = v;
        String with = "(" + r + ", " + u;
        boolean isOn = next(3) == 0;
        switch (op) {
            case 9: both("subscribe" + with + ")", () -> chat.subscribe(r, u), () -> model.subscribe(r, u)); break;
            case 10: both("unsubscribe" + with + ")", () -> chat.unsubscribe(r, u), () -> model.unsubscribe(r, u)); break;
            case 11: both("approve" + with + ")", () -> chat.approve(r, u), () -> model.approve(r, u)); break;
            case 12: both("deny" + with + ")", () -> chat.deny(r, u), () -> model.deny(r, u)); break;
            default: both("block" + with + ", " + isOn + ")", () -> chat.block(r, u, isOn), () -> model.block(r, u, isOn));
        }
    }

    private void roomAct(int op, int r) {
        if (op == 14 || op == 20) {
            int v = index(6);
            int which = ranged(-1, 1);
            isArgumentWrong |= !isIndexWrong && v == r / 2;
            both("send(" + r + ", " + v + ", " + which + ")", () -> chat.send(r, v, which), () -> model.send(r, v, which));
            return;
        }
        int g = index(2);
        String with = "(" + r + ", " + g;
        String r1 = isIndexWrong ? "" : " " + Model.name(r);
        switch (op) {
            case 15: {
                int act = next(3);
                if (act == 0) both("leave" + with + ")", () -> chat.leave(r, g), () -> model.inRoom(r, g, "leave" + r1));
                else both("join" + with + ")", () -> chat.join(r, g), () -> model.inRoom(r, g, "join" + r1));
                break;
            }
            case 16: both("say" + with + ")", () -> chat.say(r, g), () -> model.inRoom(r, g, "say" + r1)); break;
            case 17: {
                int other = index(12);
                String r2 = isIndexWrong ? "" : " " + Model.name(other);
                both("kick" + with + ", " + other + ")", () -> chat.kick(r, g, other), () -> model.inRoom(r, g, "kick" + r1 + r2));
                break;
            }
            case 18: {
                int other = index(12);
                int role = ranged(0, 1);
                String r2 = isIndexWrong ? "" : " " + Model.name(other) + " " + role;
                both("role" + with + ", " + other + ", " + role + ")", () -> chat.role(r, g, other, role),
                        () -> model.inRoom(r, g, "role" + r1 + r2));
                break;
            }
            default:
                ranking(r, g, with, r1);
        }
    }

    private void ranking(int r, int g, String with, String r1) {
        if (next(3) == 0) {
            boolean isOn = next(2) == 0;
            both("moderate" + with + ", " + isOn + ")", () -> chat.moderate(r, g, isOn),
                    () -> model.inRoom(r, g, "moderate" + r1 + (isOn ? " 1" : " 0")));
            return;
        }
        int v = index(6);
        int rank = ranged(0, 3);
        isArgumentWrong |= rank == 2;
        both("member" + with + ", " + v + ", " + rank + ")", () -> chat.member(r, g, v, rank),
                () -> model.inRoom(r, g, "member" + r1 + " " + v + " " + rank));
    }

    private void linkAct(int op) {
        if (op == 24) {
            both("fail()", () -> chat.fail() ? 1 : 0, () -> model.fail() ? 1 : 0);
        } else if (op == 25) {
            both("raise()", chat::raise, model::raise);
        } else if (op == 26) {
            int server = index(2);
            int key = isIndexWrong || next(4) == 0 ? next(97) : model.key(server);
            both("prove(" + server + ", " + key + ")", () -> chat.prove(server, key) ? 1 : 0, () -> model.prove(server, key) ? 1 : 0);
        } else if (op == 27) {
            int server = index(2);
            int many = next(2) == 0 ? 1 : ranged(1, 99);
            both("carry(" + server + ", " + many + ")", () -> chat.carry(server, many), () -> model.carry(server, many));
        } else {
            both("carryAll()", chat::carryAll, model::carryAll);
        }
    }

    private void look() {
        Check.that("digest after " + call, model.digest(), chat.digest());
        Check.that("sound after " + call, true, chat.isSound());
        int r = next(12);
        int k = next(9) - 1;
        int u = next(6);
        int v = next(6);
        int g = next(2);
        Check.that("inbox", model.inbox(r, k), chat.inbox(r, k));
        Check.that("due", model.due(r, k), chat.due(r, k));
        Check.that("sees", model.streams[r].see((r + k + 13) % 12), chat.sees(r, (r + k + 13) % 12));
        Check.that("onLink", model.onLink(g, k), chat.onLink(g, k));
        Check.that("asked", u == v ? -1 : model.toAsk[u][v], chat.asked(u, v, true));
        Check.that("blocks", model.blocks[u][v], chat.blocks(u, v));
        Check.that("stored", model.stored(u, k), chat.stored(u, k));
        int number = next(model.messages.size() + 2);
        for (int what = 0; what < 5; what++) Check.that("fate", model.fate(number, what), chat.fate(number, what));
        Check.that("roleOf", model.roleOf(g, r), chat.roleOf(g, r));
        Check.that("said", model.said(g, k), chat.said(g, k));
    }
}
