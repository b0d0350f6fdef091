import java.util.List;
import java.util.Random;

/** Long runs of calls, always the same ones, each answered by the program as by the plain model. */
public final class ModelTests {
    private static final int RUNS = 600;
    /** What an object answers later is free. */
    private static final int CALLS = 512;
    /** The most calls that oneCall() makes at once. */
    private static final int MOST_AT_ONCE = 20;

    private final Check check;
    private final Random random;
    private final int kind;
    private RangeDeeds deeds = new RangeDeeds();
    private MeterModel model = new MeterModel();

    private ModelTests(Check check, int run) {
        this.check = check;
        this.random = new Random(run * 7919L + 17);
        this.kind = run % 8;
    }

    public static void main(String[] args) {
        Check check = new Check("ModelTests");
        for (int run = 0; run < RUNS && check.isClean(); run++) {
            check.part("run " + run);
            new ModelTests(check, run).run();
        }
        check.end();
    }

    private void run() {
        int before = check.answers();
        setUp();
        // Some runs go far, others leave many calls to look at what there is.
        int steps = 60 + random.nextInt(400);
        for (int i = 0; i < steps && check.answers() - before <= CALLS - MOST_AT_ONCE && check.isClean(); i++) {
            oneCall();
        }
        while (check.answers() - before < CALLS && check.isClean()) {
            compareOne();
        }
    }

    private void setUp() {
        int owners = kind == 5 ? 2 : 3 + random.nextInt(7);
        for (int i = 0; i < owners; i++) {
            int money = kind == 1 ? 200000 : kind == 2 ? 3000 : random.nextInt(1000001) >> random.nextInt(12);
            check.due("owner(" + money + ")", deeds.owner(money), model.owner(money));
        }
        if (kind == 3) {
            check.due("set(4, 300)", deeds.set(4, 300), model.set(4, 300));
        }
        if (kind == 4) {
            check.due("set(3, 7)", deeds.set(3, 7), model.set(3, 7));
        }
    }

    /** Now and then an argument at or beyond an edge. */
    private int odd(int value) {
        if (random.nextInt(40) != 0) {
            return value;
        }
        int[] edges = {-1, 0, 1, 5, 10, 60, 61, 100, 300, 9999, 10000, 10001, 1000000, 1000001,
            Integer.MAX_VALUE, Integer.MIN_VALUE, Integer.MAX_VALUE - 9999};
        return edges[random.nextInt(edges.length)];
    }

    private int anyOwner() {
        return odd(random.nextInt(Math.max(model.now.money.size(), 1)));
    }

    /** Mostly near the beginning, near a border, or in steps, so that pieces meet. */
    private int anyFirst() {
        List<MeterModel.Range> ranges = model.now.ranges();
        switch (random.nextInt(4)) {
            case 0:
                return odd(random.nextInt(100));
            case 1:
                return odd(random.nextInt(100) * (kind == 6 ? 10 : 100));
            case 2:
                if (!ranges.isEmpty()) {
                    MeterModel.Range range = ranges.get(random.nextInt(ranges.size()));
                    return odd(Math.min(random.nextBoolean() ? range.first() : range.first() + range.length(), 9999));
                }
                return odd(9999);
            default:
                return odd(random.nextInt(10000));
        }
    }

    private int anyLength() {
        if (kind == 6) {
            return odd(10);
        }
        switch (random.nextInt(6)) {
            case 0:
                return odd(1 + random.nextInt(3));
            case 1:
                return odd(10 * (1 + random.nextInt(5)));
            case 2:
            case 3:
                return odd(1 + random.nextInt(60));
            case 4:
                return odd(1 + random.nextInt(900));
            default:
                return random.nextInt(4) == 0 ? odd(1 + random.nextInt(10000)) : odd(7);
        }
    }

    private void oneCall() {
        int choice = random.nextInt(100);
        if (choice < 30) {
            streetCall(choice);
        } else if (choice < 50) {
            dealCall();
        } else if (choice < 58) {
            moneyCall();
        } else if (choice < 72) {
            textCall();
        } else if (choice < 82) {
            backCall();
        } else {
            question();
        }
    }

    private void streetCall(int choice) {
        int owner = anyOwner();
        int first = anyFirst();
        int length = anyLength();
        if (choice < 18) {
            check.due("give(" + owner + ", " + first + ", " + length + ")",
                deeds.give(owner, first, length), model.give(owner, first, length));
        } else if (choice < 22) {
            check.due("free(" + first + ", " + length + ")", deeds.free(first, length), model.free(first, length));
        } else if (choice < 28) {
            check.due("grab(" + owner + ", " + length + ")", deeds.grab(owner, length), model.grab(owner, length));
        } else if (random.nextInt(4) == 0) {
            int heir = anyOwner();
            check.due("inherit(" + owner + ", " + heir + ")", deeds.inherit(owner, heir), model.inherit(owner, heir));
        }
    }

    private void dealCall() {
        int choice = random.nextInt(10);
        if (choice < 6) {
            transferCall();
        } else if (choice == 6) {
            check.due("drop()", deeds.drop(), model.drop());
        } else if (choice == 7) {
            check.due("failing()", deeds.failing(), model.failing());
        } else {
            check.due("close()", deeds.close(), model.close());
            if (model.now.deal.size() > 3) {
                dropFailing();
            }
        }
    }

    /** So that a deal is not stuck for ever behind a transfer that can never be done. */
    private void dropFailing() {
        int place = model.failing();
        for (int i = model.now.deal.size(); i > place && place >= 0; i--) {
            check.due("drop()", deeds.drop(), model.drop());
        }
        check.due("close()", deeds.close(), model.close());
    }

    private void transferCall() {
        List<MeterModel.Range> ranges = model.now.ranges();
        int from = anyOwner();
        int to = anyOwner();
        int first = anyFirst();
        int length = anyLength();
        int price = odd(random.nextInt(100) >> random.nextInt(5));
        if (!ranges.isEmpty() && random.nextInt(8) != 0) {
            MeterModel.Range range = ranges.get(random.nextInt(ranges.size()));
            int skipped = random.nextBoolean() ? 0 : random.nextInt(range.length());
            from = range.owner();
            first = range.first() + skipped;
            length = random.nextBoolean() ? range.length() - skipped : 1 + random.nextInt(range.length() - skipped);
        }
        check.due("transfer(" + from + ", " + to + ", " + first + ", " + length + ", " + price + ")",
            deeds.transfer(from, to, first, length, price), model.transfer(from, to, first, length, price));
    }

    private void moneyCall() {
        int owner = anyOwner();
        switch (random.nextInt(6)) {
            case 0:
                int money = odd(random.nextInt(5000));
                if (random.nextInt(3) == 0) {
                    check.due("owner(" + money + ")", deeds.owner(money), model.owner(money));
                }
                break;
            case 1:
                int[] most = {60, 90, 50, 10, 10000};
                int setting = odd(random.nextInt(5));
                int value = setting >= 0 && setting < 5 ? odd(random.nextInt(most[setting] + 1)) : 5;
                check.due("set(" + setting + ", " + value + ")", deeds.set(setting, value), model.set(setting, value));
                break;
            case 2:
            case 3:
                int cents = odd(random.nextInt(3000));
                check.due("pay(" + owner + ", " + cents + ")", deeds.pay(owner, cents), model.pay(owner, cents));
                break;
            default:
                int days = odd(1 + random.nextInt(kind == 1 ? 9 : 3));
                check.due("days(" + days + ")", deeds.days(days), model.days(days));
                break;
        }
    }

    private void textCall() {
        switch (random.nextInt(8)) {
            case 0:
                check.due("fault()", deeds.fault(), model.fault());
                break;
            case 1:
                check.due("carryOut()", deeds.carryOut(), model.carryOut());
                break;
            case 2:
                if (random.nextInt(3) == 0) {
                    check.due("wipe()", deeds.wipe(), model.wipe());
                }
                break;
            case 3:
                long odd = random.nextLong() >>> random.nextInt(64);
                check.due("put(" + odd + ")", deeds.put(odd), model.put(odd));
                break;
            default:
                putText(anyText());
                check.due("fault()", deeds.fault(), model.fault());
                if (random.nextInt(3) != 0) {
                    check.due("carryOut()", deeds.carryOut(), model.carryOut());
                }
                break;
        }
    }

    private String anyText() {
        StringBuilder text = new StringBuilder(model.pad.length() > 0 && random.nextInt(3) != 0 ? ";" : "");
        int entries = 1 + random.nextInt(4);
        for (int i = 0; i < entries; i++) {
            text.append(i == 0 ? "" : ";").append(anyEntry());
        }
        if (random.nextInt(4) == 0) {
            String signs = "+-gpd;:0123456789ABJKa";
            text.setCharAt(random.nextInt(text.length()), signs.charAt(random.nextInt(signs.length())));
        }
        return text.toString();
    }

    private String anyEntry() {
        char owner = (char) ('A' + random.nextInt(random.nextInt(6) == 0 ? 11 : Math.max(model.now.money.size(), 1)));
        int first = random.nextInt(3) == 0 ? random.nextInt(10000) : random.nextInt(300);
        int length = random.nextInt(12) == 0 ? random.nextInt(11000) : 1 + random.nextInt(60);
        switch (random.nextInt(6)) {
            case 0:
                return "-" + first + ":" + length;
            case 1:
                return "g" + owner + length;
            case 2:
                return "p" + owner + first;
            case 3:
                return "d" + (random.nextInt(9) == 0 ? random.nextInt(100) : random.nextInt(4));
            default:
                return "+" + owner + first + ":" + length;
        }
    }

    private void putText(String text) {
        int at = 0;
        while (at < text.length()) {
            long characters = 0;
            int many = Math.min(1 + random.nextInt(8), text.length() - at);
            for (int i = 0; i < many; i++) {
                characters = characters << 8 | text.charAt(at + i);
            }
            at += many;
            check.due("put(" + characters + ")", deeds.put(characters), model.put(characters));
        }
    }

    private void backCall() {
        int slot = odd(random.nextInt(2));
        switch (random.nextInt(6)) {
            case 0:
                check.due("save(" + slot + ")", deeds.save(slot), model.save(slot));
                break;
            case 1:
                if (random.nextInt(3) == 0) {
                    check.due("restore(" + slot + ")", deeds.restore(slot), model.restore(slot));
                }
                break;
            default:
                int times = random.nextInt(12) == 0 ? 8 : 1;
                for (int i = 0; i < times; i++) {
                    check.due("undo()", deeds.undo(), model.undo());
                }
                break;
        }
    }

    private void question() {
        int owner = anyOwner();
        int first = anyFirst();
        int length = anyLength();
        int what = odd(random.nextInt(3));
        check.due("hole(" + length + ", " + what + ")", deeds.hole(length, what), model.hole(length, what));
        check.due("wouldBe(" + owner + ", " + first + ", " + length + ")",
            deeds.wouldBe(owner, first, length), model.wouldBe(owner, first, length));
        check.due("quietest(" + length + ", " + what + ")", deeds.quietest(length, what), model.quietest(length, what));
        check.due("gaps(" + owner + ")", deeds.gaps(owner), model.gaps(owner));
        check.due("exchange(" + what + ")", deeds.exchange(what), model.exchange(what));
        check.due("losesIn(" + owner + ")", deeds.losesIn(owner), model.losesIn(owner));
        check.due("ownerAt(" + first + ")", deeds.ownerAt(first), model.ownerAt(first));
        check.due("shareBits(" + owner + ")", deeds.shareBits(owner), model.shareBits(owner));
        int range = odd(random.nextInt(40));
        check.due("ofRange(" + range + ", " + what + ")", deeds.ofRange(range, what), model.ofRange(range, what));
        check.due("ofOwner(" + owner + ", " + what + ")", deeds.ofOwner(owner, what), model.ofOwner(owner, what));
        check.due("ofTransfer(" + range + ", " + what + ")",
            deeds.ofTransfer(range, what), model.ofTransfer(range, what));
        check.due("count(" + what + ")", deeds.count(what), model.count(what));
        check.due("money(" + owner + ")", deeds.money(owner), model.money(owner));
    }

    /** Compares one number of what there is. */
    private void compareOne() {
        int owner = random.nextInt(Math.max(model.now.money.size(), 1));
        int range = random.nextInt(Math.max(model.now.ranges().size(), 1));
        int transfer = random.nextInt(Math.max(model.now.deal.size(), 1));
        int what = random.nextInt(7) - 1;
        switch (random.nextInt(8)) {
            case 0:
            case 1:
                check.due("ofRange(" + range + ", " + what % 3 + ")",
                    deeds.ofRange(range, what % 3), model.ofRange(range, what % 3));
                break;
            case 2:
                check.due("ofOwner(" + owner + ", " + what + ")", deeds.ofOwner(owner, what), model.ofOwner(owner, what));
                break;
            case 3:
                check.due("ofTransfer(" + transfer + ", " + what + ")",
                    deeds.ofTransfer(transfer, what), model.ofTransfer(transfer, what));
                break;
            case 4:
                check.due("money(" + owner + ")", deeds.money(owner), model.money(owner));
                break;
            case 5:
            case 6:
                int number = random.nextInt(17);
                check.due("count(" + number + ")", deeds.count(number), model.count(number));
                break;
            default:
                compareOneAnswer(owner, what % 3);
                break;
        }
    }

    /** Compares one number of what would be. */
    private void compareOneAnswer(int owner, int what) {
        switch (random.nextInt(6)) {
            case 0:
                check.due("shareBits(" + owner + ")", deeds.shareBits(owner), model.shareBits(owner));
                break;
            case 1:
                check.due("gaps(" + owner + ")", deeds.gaps(owner), model.gaps(owner));
                break;
            case 2:
                check.due("losesIn(" + owner + ")", deeds.losesIn(owner), model.losesIn(owner));
                break;
            case 3:
                check.due("exchange(" + what + ")", deeds.exchange(what), model.exchange(what));
                break;
            case 4:
                check.due("hole(17, " + what + ")", deeds.hole(17, what), model.hole(17, what));
                break;
            default:
                check.due("quietest(250, " + what + ")", deeds.quietest(250, what), model.quietest(250, what));
                break;
        }
    }
}
