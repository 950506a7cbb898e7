/** A test for each sentence that bounds sales, void ones, losses, worth, moves and the van's cost (part 3). */
public final class SaleEdgesTest {
    public static void main(String[] args) {
        twoHundredSales();
        saleForItsPrice();
        saleOfNone();
        saleOffTheShelf();
        voidSinceTheSameWeek();
        voidBeyondTheRoom();
        voidOnAShelfForNone();
        voidSaleIsNone();
        voidOfNone();
        voidTwice();
        soldAgain();
        onlyTheLastSale();
        voidAfterFiveWeeks();
        lostOffTheShelf();
        lostOfNone();
        lostIsNoSale();
        theftsBeyondTheLet();
        theftsOfAHundred();
        theftsOfNone();
        worthOfNothingYet();
        worthBySales();
        worthByWeeks();
        worthCut();
        worthOfNone();
        worthOfEach();
        worthAsNew();
        aboveTheCost();
        bothSidesCut();
        anotherShop();
        withRoom();
        greatestWorth();
        equalOnes();
        movedFromNowOn();
        movedOfNone();
        movedNotSo();
        costAtFirst();
        leastAndMostCost();
        otherCost();
        Check.end();
    }

    private static void twoHundredSales() {
        Check.at("A SALE: its number; NONE: no such THING, it is not on a shelf, 200 are there");
        GiftShops x = Check.lying(2, 0);
        for (int sale = 0; sale < 199; sale++) {
            Check.due("sale " + sale, x.sell(0), sale);
            Check.yes("void " + sale, x.undo(sale));
        }
        Check.due("the 200th", x.sell(0), 199);
        Check.due("a 201st", x.sell(1), -1);
        Check.due("it stays on its shelf", Check.look(x, 1, 0), 1);
        Check.due("SALES that are not VOID", x.count(2), 1);
        // numbers are not given again, so VOID ones count among the 200: NOTES.md tells of this reading
        Check.yes("the 200th is void", x.undo(199));
        Check.due("still 200", x.sell(0), -1);
        Check.no("sale 200", x.undo(200));
    }

    private static void saleForItsPrice() {
        Check.at("numbered: a THING on a shelf, for its price, in a WEEK");
        GiftShops x = Check.lying(6, 0);
        x.base(0, 100);
        int sum = 0;
        int[] prices = {100, 80, 60, 40, 20};
        for (int week = 0; week < 5; week++) {
            Check.due("a sale in week " + week, x.sell(week), week);
            sum += prices[week];
            Check.due("their sum", x.count(3), sum);
            x.weeks(1);
        }
        Check.due("the sixth is RAG", x.sell(5), -1);
        x.base(0, 7);
        Check.due("another base changes no SALE", x.count(3), 300);
    }

    private static void saleOfNone() {
        Check.at("A SALE: its number; NONE: no such THING");
        GiftShops x = Check.lying(1, 0);
        Check.due("behind the last", x.sell(1), -1);
        for (int thing : Check.WILD) {
            Check.due("THING " + thing, x.sell(thing), -1);
        }
        Check.due("no SALE", x.count(2), 0);
        Check.due("the first number", x.sell(0), 0);
    }

    private static void saleOffTheShelf() {
        Check.at("A SALE: its number; NONE: no such THING, it is not on a shelf");
        GiftShops x = Check.oneOfEach();
        for (int is = 0; is <= 6; is++) {
            Check.due("of one that is " + is, x.sell(is), is == 1 ? 1 : -1);
        }
        Check.due("SALES", x.count(2), 2);
    }

    private static void voidSinceTheSameWeek() {
        Check.at("the THING is on that shelf again, since the same WEEK as ahead");
        GiftShops x = Check.with(Check.ALL_SHELF);
        x.base(0, 100);
        x.weeks(3);
        x.sort(x.give(0, 0, 0, 4), 4);
        x.weeks(1);
        x.sell(0);
        Check.due("sold: since when", Check.look(x, 0, 2), -1);
        x.weeks(2);
        Check.yes("void", x.undo(0));
        Check.due("what it is", Check.look(x, 0, 0), 1);
        Check.due("its SHOP", Check.look(x, 0, 1), 4);
        Check.due("since", Check.look(x, 0, 2), 3);
        Check.due("its price", x.price(0), 40);
        x.weeks(1);
        Check.due("its last week", x.price(0), 20);
        x.weeks(1);
        Check.due("five weeks since then", Check.look(x, 0, 0), 3);
    }

    private static void voidBeyondTheRoom() {
        Check.at("(there may be one more than the shelf is for then)");
        GiftShops x = Check.lying(10, 0);
        x.sell(0);
        int eleventh = x.give(0, 0, 0, 4);
        Check.due("its place is taken", x.sort(eleventh, 0), 1);
        Check.yes("void", x.undo(0));
        Check.due("eleven on a shelf for ten", x.count(4), 11);
        int next = x.give(0, 0, 0, 4);
        Check.due("no room for another", x.sort(next, 0), 2);
        x.lose(1);
        Check.due("ten on a shelf for ten", x.sort(next, 0), 2);
        x.lose(2);
        Check.due("nine on a shelf for ten", x.sort(next, 0), 1);
    }

    private static void voidOnAShelfForNone() {
        Check.at("(there may be one more than the shelf is for then)");
        GiftShops x = Check.lying(2, 0);
        x.sell(0);
        x.sell(1);
        x.shelf(0, 0);
        Check.yes("void", x.undo(1));
        Check.yes("and the other", x.undo(0));
        Check.due("on shelves", x.count(4), 2);
        Check.due("its SHOP", Check.look(x, 0, 1), 0);
    }

    private static void voidSaleIsNone() {
        Check.at("and the sale is none any more");
        GiftShops x = Check.lying(2, 0);
        x.base(0, 100);
        x.sell(0);
        x.sell(1);
        Check.due("worth by two", x.worth(0, 0), 75);
        Check.yes("void", x.undo(0));
        Check.due("SALES that are not VOID", x.count(2), 1);
        Check.due("their sum", x.count(3), 100);
        Check.due("RELIEF", x.relief(0, 0), 25);
        Check.due("worth by one", x.worth(0, 0), 66);
        x.weeks(52);
        Check.yes("void a YEAR later", x.undo(1));
        Check.due("RELIEF of the YEAR behind", x.relief(0, 0), 0);
        Check.due("their sum", x.count(3), 0);
    }

    private static void voidOfNone() {
        Check.at("A SALE is VOID: true; false: none such");
        GiftShops x = Check.lying(2, 0);
        Check.no("none yet", x.undo(0));
        x.sell(0);
        Check.no("behind the last", x.undo(1));
        for (int sale : Check.WILD) {
            Check.no("sale " + sale, x.undo(sale));
        }
        Check.due("it is SOLD", Check.look(x, 0, 0), 5);
    }

    private static void voidTwice() {
        Check.at("false: none such, it is");
        GiftShops x = Check.lying(1, 0);
        x.sell(0);
        Check.yes("void", x.undo(0));
        Check.no("twice", x.undo(0));
        Check.due("one on a shelf", x.count(4), 1);
        x.lose(0);
        Check.no("LOST since", x.undo(0));
        Check.due("it is LOST", Check.look(x, 0, 0), 6);
    }

    private static void soldAgain() {
        Check.at("if it is not elsewhere by a later sale");
        GiftShops x = Check.lying(1, 0);
        x.base(0, 100);
        x.weeks(2);
        x.sell(0);
        x.undo(0);
        Check.yes("moved", x.move(0));
        Check.due("sold there", x.sell(0), 1);
        Check.no("the first", x.undo(0));
        Check.due("it is SOLD", Check.look(x, 0, 0), 5);
        Check.due("its SHOP", Check.look(x, 0, 1), 1);
        Check.yes("the later one", x.undo(1));
        Check.due("on that shelf", Check.look(x, 0, 1), 1);
        Check.due("since it came there", Check.look(x, 0, 2), 2);
        Check.due("how often it was MOVED", Check.look(x, 0, 3), 1);
    }

    private static void onlyTheLastSale() {
        Check.at("it is, the THING was sold again");
        GiftShops x = Check.lying(2, 0);
        for (int sale = 0; sale < 3; sale++) {
            Check.due("sale " + sale, x.sell(0), sale);
            for (int before = 0; before < sale; before++) {
                Check.no("the one before, " + before, x.undo(before));
            }
            Check.due("it is SOLD", Check.look(x, 0, 0), 5);
            Check.due("one SALE", x.count(2), 1);
            if (sale < 2) {
                Check.yes("the last", x.undo(sale));
            }
        }
        Check.due("another THING's sale", x.sell(1), 3);
        Check.yes("does not hinder", x.undo(2));
        Check.yes("nor is hindered", x.undo(3));
    }

    private static void voidAfterFiveWeeks() {
        Check.at("as a WEEK ends and it was there for 5 it is RAG");
        GiftShops x = Check.lying(2, 0);
        x.sell(0);
        x.sell(1);
        x.weeks(5);
        x.undo(0);
        Check.due("no WEEK has ended since", Check.look(x, 0, 0), 1);
        x.weeks(0);
        Check.due("nor now", Check.look(x, 0, 0), 1);
        x.weeks(1);
        Check.due("one has", Check.look(x, 0, 0), 3);
        x.weeks(60);
        x.undo(1);
        Check.due("long after", Check.look(x, 1, 0), 1);
        x.weeks(1);
        Check.due("one has", Check.look(x, 1, 0), 3);
    }

    private static void lostOffTheShelf() {
        Check.at("A THING is LOST: true; false: none such, it is not on a shelf");
        GiftShops x = Check.oneOfEach();
        for (int is = 0; is <= 6; is++) {
            Check.due("of one that is " + is, x.lose(is), is == 1);
        }
        int[] due = {0, 6, 2, 3, 4, 5, 6};
        for (int is = 0; is <= 6; is++) {
            Check.due("what it is then, of " + is, Check.look(x, is, 0), due[is]);
        }
        Check.due("its SHOP", Check.look(x, 1, 1), 1);
        Check.due("THEFTS there", x.thefts(1, 0), 1);
        Check.due("THEFTS where it was sold", x.thefts(2, 0), 0);
        Check.due("THEFTS where one was LOST", x.thefts(3, 0), 1);
    }

    private static void lostOfNone() {
        Check.at("A THING is LOST: true; false: none such");
        GiftShops x = Check.lying(1, 0);
        Check.no("behind the last", x.lose(1));
        for (int thing : Check.WILD) {
            Check.no("THING " + thing, x.lose(thing));
        }
        Check.due("THEFTS", x.thefts(0, 0), 0);
    }

    private static void lostIsNoSale() {
        Check.at("LOST: a THING is no more on its shelf by a count");
        GiftShops x = Check.lying(10, 0);
        x.base(0, 100);
        x.lose(0);
        Check.due("on shelves", x.count(4), 9);
        Check.due("SALES", x.count(2), 0);
        Check.due("worth there", x.worth(0, 0), 50);
        x.weeks(1);
        Check.due("it lies there no more", x.worth(0, 0), 100 / 11);
        Check.due("its place is free", x.sort(x.give(0, 0, 0, 4), 0), 1);
    }

    private static void theftsBeyondTheLet() {
        Check.at("those beyond as many as are told to be let");
        GiftShops x = Check.lying(3, 2);
        for (int lost = 0; lost <= 3; lost++) {
            for (int let = 0; let <= 4; let++) {
                Check.due(lost + " lost, let " + let, x.thefts(2, let), lost > let ? lost - let : 0);
            }
            Check.due("another SHOP", x.thefts(1, 0), 0);
            x.lose(lost);
        }
    }

    private static void theftsOfAHundred() {
        Check.at("How many LOST are let (0 to 100)");
        GiftShops x = Check.lying(0, 0);
        for (int i = 0; i < 100; i++) {
            x.sort(x.give(0, 0, 0, 4), 4);
            x.lose(i);
        }
        Check.due("let 0", x.thefts(4, 0), 100);
        Check.due("let 99", x.thefts(4, 99), 1);
        Check.due("let 100", x.thefts(4, 100), 0);
        Check.due("let 101", x.thefts(4, 101), -1);
        for (int let : Check.WILD) {
            Check.due("let " + let, x.thefts(4, let), -1);
        }
    }

    private static void theftsOfNone() {
        Check.at("THEFTS of a SHOP by it; NONE: none such, another number");
        GiftShops x = Check.lying(1, 0);
        x.lose(0);
        Check.due("SHOP 5", x.thefts(5, 0), -1);
        for (int shop : Check.WILD) {
            Check.due("SHOP " + shop, x.thefts(shop, 0), -1);
        }
        Check.due("the last SHOP", x.thefts(4, 0), 0);
    }

    private static void worthOfNothingYet() {
        Check.at("the price it would have as new there * (s + 1) / (s + h + 2), cut");
        GiftShops x = Check.with(Check.ALL_SHELF);
        x.give(0, 0, 0, 0);
        int[][] baseAndWorth = {{1, 0}, {2, 1}, {3, 1}, {9999, 4999}, {10000, 5000}};
        for (int[] b : baseAndWorth) {
            x.base(0, b[0]);
            for (int shop = 0; shop < 5; shop++) {
                Check.due("base " + b[0] + " in SHOP " + shop, x.worth(0, shop), b[1]);
            }
        }
    }

    private static void worthBySales() {
        Check.at("s, how many THINGS of it were SOLD there (VOID ones not counted)");
        GiftShops x = Check.lying(3, 1);
        x.base(0, 1000);
        int[] due = {500, 666, 750, 800};
        for (int sold = 0; sold < 4; sold++) {
            Check.due(sold + " SOLD", x.worth(0, 1), due[sold]);
            Check.due("not in another SHOP", x.worth(0, 0), 500);
            x.sell(sold);
        }
        x.give(0, 1, 0, 0);
        x.base(1, 1000);
        Check.due("not of another kind", x.worth(3, 1), 500);
        for (int sale = 0; sale < 3; sale++) {
            x.undo(sale);
            Check.due(2 - sale + " SOLD", x.worth(0, 1), due[2 - sale]);
        }
    }

    private static void worthByWeeks() {
        Check.at("h, how many WEEKS THINGS of it lay on that shelf in all as WEEKS ended");
        GiftShops x = Check.lying(2, 1);
        x.base(0, 10000);
        int[] lain = {0, 2, 4, 6, 8, 10, 10};
        for (int week = 0; week < lain.length; week++) {
            Check.due("week " + week, x.worth(0, 1), 10000 / (lain[week] + 2));
            Check.due("not in another SHOP", x.worth(0, 2), 5000);
            x.weeks(1);
        }
        x = Check.lying(1, 1);
        x.base(0, 10000);
        x.sell(0);
        x.weeks(3);
        x.undo(0);
        Check.due("not while it was SOLD", x.worth(0, 1), 5000);
        x.weeks(1);
        Check.due("and then again", x.worth(0, 1), 3333);
        x.base(1, 10000);
        x.give(0, 1, 0, 0);
        Check.due("not of another kind", x.worth(1, 1), 5000);
        x.weeks(1);
        Check.due("with the WEEK in which it is RAG", x.worth(0, 1), 2500);
        x.weeks(1);
        Check.due("not as a RAG", x.worth(0, 1), 2500);
    }

    private static void worthCut() {
        Check.at("* (s + 1) / (s + h + 2), cut");
        GiftShops x = Check.lying(2, 0);
        x.base(0, 8);
        x.weeks(1);
        x.sell(0);
        // 8 * 2 / 5, not 8 * (2 / 5) and not 8 / 5 * 2
        Check.due("cut at the end", x.worth(0, 0), 3);
    }

    private static void worthOfNone() {
        Check.at("WORTH of a THING in a SHOP; NONE: none such");
        GiftShops x = Check.lying(1, 0);
        Check.due("behind the last THING", x.worth(1, 0), -1);
        Check.due("SHOP 5", x.worth(0, 5), -1);
        for (int n : Check.WILD) {
            Check.due("THING " + n, x.worth(n, 0), -1);
            Check.due("SHOP " + n, x.worth(0, n), -1);
        }
    }

    private static void worthOfEach() {
        Check.at("WORTH of a THING in a SHOP");
        GiftShops x = Check.oneOfEach();
        for (int is = 0; is <= 6; is++) {
            Check.due("of one that is " + is, x.worth(is, 4), 5);
            Check.due("where one was SOLD", x.worth(is, 2), 6);
        }
    }

    private static void worthAsNew() {
        Check.at("the price it would have as new there");
        GiftShops x = Check.lying(1, 0);
        x.base(0, 1000);
        x.weeks(4);
        Check.due("its price", x.price(0), 200);
        Check.due("elsewhere", x.worth(0, 1), 500);
        Check.due("where it lies", x.worth(0, 0), 1000 / 6);
    }

    /** One thing that would win so much by a move: half its base elsewhere, less its price / 3 here. */
    private static GiftShops oneWeekLain(int base) {
        GiftShops x = Check.lying(1, 0);
        x.base(0, base);
        x.weeks(1);
        return x;
    }

    private static void aboveTheCost() {
        Check.at("is above the van's cost");
        GiftShops x = oneWeekLain(30);
        // 15 elsewhere, 24 * 1 / 3 = 8 here
        int[][] costAndShop = {{6, 1}, {7, -1}, {8, -1}, {0, 1}};
        for (int[] c : costAndShop) {
            x.van(c[0]);
            Check.due("cost " + c[0], x.where(0), c[1]);
        }
        GiftShops even = Check.lying(1, 0);
        even.van(0);
        Check.due("nothing to win, no cost", even.where(0), -1);
        Check.no("it is not MOVED", even.move(0));
        even.base(0, 1);
        Check.due("worth 0 everywhere", even.where(0), -1);
    }

    private static void bothSidesCut() {
        Check.at("if that less its price now * (s + 1) / (s + h + 2) there, cut, is above the van's cost");
        GiftShops x = oneWeekLain(100);
        // 50 elsewhere, 80 * 1 / 3 = 26 here: 24, though 50 - 26.67 is 23 when cut
        x.van(23);
        Check.due("above 23", x.where(0), 1);
        x.van(24);
        Check.due("not above 24", x.where(0), -1);
        GiftShops sold = Check.lying(2, 0);
        sold.base(0, 1000);
        sold.weeks(1);
        sold.sell(1);
        // 500 elsewhere; here s = 1, h = 2: 800 * 2 / 5 = 320
        sold.van(179);
        Check.due("above 179", sold.where(0), 1);
        sold.van(180);
        Check.due("not above 180", sold.where(0), -1);
    }

    private static void anotherShop() {
        Check.at("to the SHOP with room, another one");
        for (int shop = 0; shop < 5; shop++) {
            GiftShops x = Check.lying(2, shop);
            x.base(0, 10000);
            x.sell(1);
            x.weeks(4);
            // where it lies it is worth more, 10000 * 2 / 7, than 2000 * 2 / 7: but that is no other SHOP
            Check.due("from " + shop, x.where(0), shop == 0 ? 1 : 0);
            for (int other = 0; other < 5; other++) {
                x.shelf(other, other == shop ? 40 : 0);
            }
            Check.due("room in " + shop + " alone", x.where(0), -1);
        }
    }

    private static void withRoom() {
        Check.at("to the SHOP with room");
        GiftShops x = oneWeekLain(1000);
        x.shelf(1, 0);
        x.shelf(2, 1);
        Check.due("a place in 2", x.where(0), 2);
        x.sort(x.give(0, 1, 0, 4), 2);
        Check.due("no place in 2", x.where(0), 3);
        x.sell(1);
        Check.due("a place in 2 again", x.where(0), 2);
        for (int shop = 0; shop < 5; shop++) {
            x.shelf(shop, 0);
        }
        Check.due("no room at all", x.where(0), -1);
        Check.no("it is not MOVED", x.move(0));
        x.shelf(4, 40);
        Check.due("the last SHOP alone", x.where(0), 4);
    }

    private static void greatestWorth() {
        Check.at("with the greatest WORTH");
        GiftShops x = oneWeekLain(1000);
        x.sort(x.give(0, 0, 0, 4), 3);
        x.sell(1);
        Check.due("where one was SOLD", x.where(0), 3);
        x.shelf(3, 0);
        Check.due("without room there", x.where(0), 1);
        x.shelf(3, 1);
        x.undo(0);
        Check.due("the sale is VOID, its place taken", x.where(0), 1);
        x.shelf(3, 2);
        x.weeks(1);
        Check.due("one lay there", x.where(0), 1);
    }

    private static void equalOnes() {
        Check.at("of equal ones the least");
        GiftShops x = oneWeekLain(1000);
        int[] due = {1, 2, 3, 4};
        for (int i = 0; i < 4; i++) {
            Check.due("without the first " + i, x.where(0), due[i]);
            x.shelf(i + 1, 0);
        }
        GiftShops cut = oneWeekLain(100);
        cut.base(0, 10);
        cut.van(0);
        // 10 * 2 / 3 = 6 and 10 * 3 / 5 = 6: equal only as they are cut
        cut.sort(cut.give(0, 0, 0, 4), 3);
        cut.sell(1);
        Check.due("6 in 3, 5 in the others", cut.where(0), 3);
        for (int i = 0; i < 2; i++) {
            cut.sort(cut.give(0, 0, 0, 4), 1);
        }
        cut.weeks(1);
        cut.sell(2);
        cut.sell(3);
        Check.due("worth in 1", cut.worth(0, 1), 5);
        Check.due("worth in 3", cut.worth(0, 3), 6);
        cut.sort(cut.give(0, 0, 0, 4), 1);
        cut.sell(4);
        cut.sort(cut.give(0, 0, 0, 4), 1);
        cut.sell(5);
        Check.due("10 * 5 / 8 in 1", cut.worth(0, 1), 6);
        Check.due("cut they are equal", cut.where(0), 1);
    }

    private static void movedFromNowOn() {
        Check.at("It is MOVED (on the shelf there from NOW on): true");
        GiftShops x = Check.lying(1, 0);
        x.base(0, 1000);
        x.shelf(0, 1);
        x.shelf(1, 1);
        x.weeks(4);
        Check.yes("moved", x.move(0));
        Check.due("its SHOP", Check.look(x, 0, 1), 1);
        Check.due("since", Check.look(x, 0, 2), 4);
        Check.due("how often", Check.look(x, 0, 3), 1);
        Check.due("its price", x.price(0), 1000);
        Check.due("its place there is taken", x.sort(x.give(0, 0, 0, 4), 1), 2);
        Check.due("its place here is free", x.sort(x.give(0, 0, 0, 4), 0), 1);
        x.weeks(1);
        Check.due("not RAG by the weeks on the other shelf", Check.look(x, 0, 0), 1);
        Check.due("it lay there", x.worth(0, 1), 333);
        Check.due("and not here but the four weeks and the other's one", x.worth(0, 0), 1000 / 7);
        x.weeks(3);
        Check.yes("moved again", x.move(0));
        Check.due("how often", Check.look(x, 0, 3), 2);
        Check.due("its SHOP", Check.look(x, 0, 1), 2);
    }

    private static void movedOfNone() {
        Check.at("The SHOP to which a THING would be MOVED; NONE: none such, it is not on a shelf, none");
        GiftShops x = Check.oneOfEach();
        x.base(0, 1000);
        x.weeks(1);
        for (int is = 0; is <= 6; is++) {
            Check.due("of one that is " + is, x.where(is), is == 1 ? 2 : -1);
        }
        Check.due("behind the last", x.where(7), -1);
        for (int thing : Check.WILD) {
            Check.due("THING " + thing, x.where(thing), -1);
        }
        Check.due("asking moves nothing", Check.look(x, 1, 1), 1);
    }

    private static void movedNotSo() {
        Check.at("false: not so");
        GiftShops x = Check.oneOfEach();
        x.base(0, 1000);
        x.weeks(1);
        for (int is = 0; is <= 6; is++) {
            Check.due("of one that is " + is, x.move(is), is == 1);
            Check.due("how often", Check.look(x, is, 3), is == 1 ? 1 : 0);
            Check.due("what it is", Check.look(x, is, 0), is);
        }
        Check.no("behind the last", x.move(7));
        for (int thing : Check.WILD) {
            Check.no("THING " + thing, x.move(thing));
        }
        Check.no("nothing to win", x.move(1));
        Check.due("it stays", Check.look(x, 1, 1), 2);
    }

    private static void costAtFirst() {
        Check.at("the van's cost (0 to 1000; 5 at first)");
        // 14: 7 elsewhere, 11 * 1 / 3 = 3 here; 18: 9 and 14 * 1 / 3 = 4; 20: 10 and 16 * 1 / 3 = 5; 22: 11 and 5
        Check.due("4 to win", oneWeekLain(14).where(0), -1);
        Check.due("5 to win", oneWeekLain(18).where(0), -1);
        Check.due("5 to win", oneWeekLain(20).where(0), -1);
        Check.due("6 to win", oneWeekLain(22).where(0), 1);
    }

    private static void leastAndMostCost() {
        Check.at("The van's cost: true");
        GiftShops x = oneWeekLain(10);
        // 5 elsewhere, 8 * 1 / 3 = 2 here
        Check.yes("0", x.van(0));
        Check.due("3 to win", x.where(0), 1);
        Check.yes("1000", x.van(1000));
        x.base(0, 4284);
        // 2142 elsewhere, 3427 * 1 / 3 = 1142 here
        Check.due("1000 to win", x.where(0), -1);
        x.base(0, 4286);
        // 2143 elsewhere, 3428 * 1 / 3 = 1142 here
        Check.due("1001 to win", x.where(0), 1);
    }

    private static void otherCost() {
        Check.at("The van's cost: true; false: another one");
        GiftShops x = oneWeekLain(22);
        Check.no("1001", x.van(1001));
        for (int cost : Check.WILD) {
            Check.no("" + cost, x.van(cost));
        }
        Check.due("6 to win, still 5", x.where(0), 1);
        x.van(6);
        Check.no("-1", x.van(-1));
        Check.due("6 to win, still 6", x.where(0), -1);
    }
}
